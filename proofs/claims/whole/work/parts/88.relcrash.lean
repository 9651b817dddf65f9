/-! BITS -/
def bt (x : Int32) (i : Nat) : Bool := x.toBitVec.getLsbD i
theorem bt_or {x y : Int32} {i : Nat} : bt (x ||| y) i = (bt x i || bt y i) := by
  unfold bt; rw [Int32.toBitVec_or, BitVec.getLsbD_or]
theorem bt_one : ∀ j, j < 8 → ∀ i, i < 8 → bt (nI 1 <<< (nI j &&& 31)) i = decide (i = j) := by decide
theorem bt_z {i : Nat} (h : i < 8) : bt (nI 0) i = false := by
  have : ∀ i, i < 8 → bt (nI 0) i = false := by decide
  exact this i h
theorem sh_bv {x : Int32} {i : Nat} (h : i < 8) : (x >>> (nI i &&& 31)).toBitVec = x.toBitVec.sshiftRight i := by
  have e : ∀ i, i < 8 → (BitVec.smod (nI i &&& 31).toBitVec 32).toNat = i := by decide
  rw [Int32.toBitVec_shiftRight]
  show x.toBitVec.sshiftRight (BitVec.smod (nI i &&& 31).toBitVec 32).toNat = _
  rw [e i h]
theorem bt_iff {x : Int32} {i : Nat} (h : i < 8) : ((x >>> (nI i &&& 31)) &&& nI 1 = nI 1) ↔ bt x i = true := by
  have e0 : (x.toBitVec.sshiftRight i).getLsbD 0 = bt x i := by
    rw [BitVec.getLsbD_sshiftRight]
    unfold bt
    simp [show i < 32 by omega]
  rw [← Int32.toBitVec_inj, Int32.toBitVec_and, sh_bv h]
  constructor
  · intro q
    have := congrArg (fun b : BitVec 32 => b.getLsbD 0) q
    rw [BitVec.getLsbD_and, e0] at this
    have h1 : (nI 1).toBitVec.getLsbD 0 = true := by decide
    rw [h1, Bool.and_true] at this
    exact this
  · intro q
    apply BitVec.eq_of_getLsbD_eq
    intro k hk
    rw [BitVec.getLsbD_and]
    rcases Nat.eq_zero_or_pos k with e | e
    · subst e; rw [e0, q, Bool.true_and]
    · have h1 : (nI 1).toBitVec.getLsbD k = false := by
        have : ∀ k, k < 32 → 0 < k → (nI 1).toBitVec.getLsbD k = false := by decide
        exact this k hk e
      rw [h1, Bool.and_false]
theorem bt_msk {f : Nat → Bool} {g : Nat → Int32 → Int32} {x0 : Int32} (hg : ∀ i x, g i x = if f i = true then x ||| (nI 1 <<< (nI i &&& 31)) else x) : ∀ n, n ≤ 8 → ∀ i, i < 8 → bt (itr g n 0 x0) i = (bt x0 i || (decide (i < n) && f i)) := by
  intro n
  induction n with
  | zero =>
    intro _ i _
    show bt x0 i = _
    simp
  | succ n ih =>
    intro hn i hi
    rw [itr_snoc, hg, Nat.zero_add]
    by_cases hf : f n = true
    · rw [if_pos hf, bt_or, bt_one n (by omega) i hi, ih (by omega) i hi]
      by_cases e : i = n
      · rw [e, hf]; simp
      · rw [show decide (i < n + 1) = decide (i < n) by by_cases q : i < n <;> simp [q] <;> omega]
        simp [e]
    · rw [if_neg hf, ih (by omega) i hi]
      by_cases e : i = n
      · rw [e]
        have : f n = false := by simpa using hf
        rw [this]; simp
      · rw [show decide (i < n + 1) = decide (i < n) by by_cases q : i < n <;> simp [q] <;> omega]
/-- a node goes away -/
theorem rlx_clrK {M : Int} {X Q : Nat → Prop} {row : Nat} {σ : CS} {τ : MS} (R : Rlx M X Q σ τ) (hr : row < 64) (hz : τ 9 row = 0) : Rlx M (fun r => X r ∧ r ≠ row) Q (pClear 6 0 3 row σ) τ := by
  obtain ⟨T, N, U, K, F, Ca, C⟩ := R
  obtain ⟨p1, p2, p4, p5, p6, p7⟩ := pC (nb := 6) (cb := 0) (cn := 3) (row := row) (σ := σ) (by omega)
  refine ⟨T.c (sT_C (Or.inl ⟨rfl, rfl⟩)) ⟨rfl, rfl, rfl, rfl, rfl, rfl, rfl⟩, by unfold gN; rw [p1 2 (by omega) (by omega)]; exact N, U, fun j hj hx => ?_, ?_, Ca, gC_clrK C hr⟩
  · rw [p4 2 (by omega), p2, p1 7 (by omega) (by omega), p7]
    by_cases e : j = row
    · rw [e, pk_us, pk_uLs, hz]
      exact ⟨rfl, by rw [t0]; omega, by rw [t0]; have := T.1; omega, fun q => absurd rfl q, fun _ => rfl⟩
    · rw [pk_un e, pk_uLn e]
      exact K j hj (fun q => hx ⟨q, e⟩)
  · unfold gF; rw [p4 2 (by omega), p1 8 (by omega) (by omega), p1 9 (by omega) (by omega), p1 10 (by omega) (by omega), p6 1 (by omega)]; exact F
theorem rlx_crash {M : Int} {u : Nat} {σ : CS} {τ : MS} (R : Rel M 600 σ τ) (hu : u < 8) : Rlx M (fun r => r / 8 = u) (fun q => q / 64 = u ∨ q / 8 % 8 = u) (sI 1 u (nI 0) σ) (mForget u (mS 2 u (nI 0) τ)) := by
  have hM := rel_M0 R
  obtain ⟨T, N, U, K, F, Hh, Ca, C⟩ := R
  have ek : ∀ k, k ≠ 2 → k ≠ 3 → k ≠ 9 → (mForget u (mS 2 u (nI 0) τ)) k = τ k := fun k a b c => by rw [mForget_k b c, mS_ne a]
  have e2 : (mForget u (mS 2 u (nI 0) τ)) 2 = upd (τ 2) u (nI 0) := by rw [mForget_k (by decide) (by decide), mS_at]
  have e3 : (mForget u (mS 2 u (nI 0) τ)) 3 = upd (τ 3) u (nI 0) := by rw [mForget_3, mS_ne (by decide)]
  have e9 : ∀ j, (mForget u (mS 2 u (nI 0) τ)) 9 j = if 8 * u ≤ j ∧ j < 8 * u + 8 then nI 0 else τ 9 j := fun j => by rw [mForget_9, mS_ne (by decide)]
  have c1 : (sI 1 u (nI 0) σ).1 1 = upd (σ.1 1) u (nI 0) := rfl
  refine ⟨?_, fun a ha hz9 => ?_, fun a o ha ho hz9 => ?_, fun j hj hx => ?_, ?_, fun j hj hz9 => ?_, C⟩
  · obtain ⟨T0, T1, T2, T3, T4⟩ := T
    unfold gT
    rw [ek 0 (by decide) (by decide) (by decide), ek 5 (by decide) (by decide) (by decide), ek 6 (by decide) (by decide) (by decide), ek 7 (by decide) (by decide) (by decide), ek 8 (by decide) (by decide) (by decide)]
    refine ⟨T0, fun a ha => ?_, T2, T3, T4⟩
    rw [c1, e2]
    by_cases e : a = u
    · rw [e, pk_us, pk_us]
    · rw [pk_un e, pk_un e]; exact T1 a ha
  · by_cases e : a = u
    · rw [e2, e, pk_us] at hz9; exact absurd nI0 hz9
    · rw [e2, pk_un e] at hz9
      rw [e3, pk_un e]
      exact N a ha hz9
  · rw [e9]
    by_cases e : a = u
    · rw [if_pos (by omega)]; exact nI0
    · rw [e2, pk_un e] at hz9
      rw [if_neg (by omega)]
      exact U a o ha ho hz9
  · rw [e9, if_neg (by omega), ek 10 (by decide) (by decide) (by decide), ek 11 (by decide) (by decide) (by decide)]
    exact K j hj (fun h => h)
  · unfold gF; rw [ek 12 (by decide) (by decide) (by decide), ek 13 (by decide) (by decide) (by decide), ek 14 (by decide) (by decide) (by decide), ek 15 (by decide) (by decide) (by decide)]; exact F
  · rw [ek 12 (by decide) (by decide) (by decide)] at hz9
    by_cases q : j / 64 = u ∨ j / 8 % 8 = u
    · exact Or.inr q
    · left
      obtain ⟨a1, a2, a3, a4⟩ := mCarr_of (Ca j hj hz9)
      refine mCarr_to ?_ ?_ ?_ ?_
      · rw [ek 5 (by decide) (by decide) (by decide)]; exact a1
      · rw [ek 8 (by decide) (by decide) (by decide)]; exact a2
      · rw [e2, pk_un (fun e => q (Or.inl e))]; exact a3
      · rw [e2, pk_un (fun e => q (Or.inr e))]; exact a4
theorem rel_crash1 {M : Int} {P u : Nat} {σ : CS} {τ : MS} (R : Rel M 600 σ τ) (G : gP P σ τ) (hP : P ≤ 20) (hu : u < 8) : Rel M 600 (itr (fCrC P u) 8 0 (sI 1 u (nI 0) σ)) (itr (fCr2 P u) 8 0 (mForget u (mS 2 u (nI 0) τ))) ∧ gP P (itr (fCrC P u) 8 0 (sI 1 u (nI 0) σ)) (itr (fCr2 P u) 8 0 (mForget u (mS 2 u (nI 0) τ))) ∧ (itr (fCr2 P u) 8 0 (mForget u (mS 2 u (nI 0) τ))) 2 = upd (τ 2) u (nI 0) ∧ (itr (fCr2 P u) 8 0 (mForget u (mS 2 u (nI 0) τ))) 8 = τ 8 := by
  have e2 : (mForget u (mS 2 u (nI 0) τ)) 2 = upd (τ 2) u (nI 0) := by rw [mForget_k (by decide) (by decide), mS_at]
  have e8 : (mForget u (mS 2 u (nI 0) τ)) 8 = τ 8 := by rw [mForget_k (by decide) (by decide), mS_ne (by decide)]
  have G0 : gP P (sI 1 u (nI 0) σ) (mForget u (mS 2 u (nI 0) τ)) := gP_keep G (keep_sI (by decide) (Or.inl (by decide))) ((mKp_S (by omega)).t (fun k a b => mForget_k (by omega) (by omega)))
  have := itr_rel (f := fCrC P u) (g := fCr2 P u) (fun j s t => Rlx M (fun r => r / 8 = u ∧ j ≤ r % 8) (fun q => (q / 64 = u ∧ j ≤ q / 8 % 8) ∨ (q / 8 % 8 = u ∧ j ≤ q / 64)) s t ∧ gP P s t ∧ t 2 = upd (τ 2) u (nI 0) ∧ t 8 = τ 8) 0 _ _ ⟨rlx_w (rlx_crash R hu) (fun j _ h => ⟨h, by omega⟩) (fun j _ h => h.elim (fun h => Or.inl ⟨h, by omega⟩) (fun h => Or.inr ⟨h, by omega⟩)), G0, e2, e8⟩ 8 (fun j s t hj hR => by
    rw [Nat.zero_add]
    obtain ⟨hR, hG, h2, h8⟩ := hR
    unfold fCrC fCr2
    rw [show u * 8 + j = 8 * u + j by omega]
    have hz : t 9 (8 * u + j) = 0 := hR.2.2.1 u j hu hj (by rw [h2, pk_us]; exact nI0)
    have R1 := rlx_cut (P := P) (rlx_clrK hR (show 8 * u + j < 64 by omega) hz) hu hj
    refine ⟨rlx_w R1 (fun r hr h => ?_) (fun q hq h => ?_), gP_cut (gP_keep hG (pClear_keep (by decide) (by decide) (by decide)) mKp.r) hP, ?_, ?_⟩
    · obtain ⟨⟨a, b⟩, c⟩ := h
      exact ⟨a, by omega⟩
    · obtain ⟨a, b, c⟩ := h
      omega
    · rw [mCut_k (by decide) (by decide)]; exact h2
    · rw [mCut_k (by decide) (by decide)]; exact h8)
  obtain ⟨a, b, c, d⟩ := this
  exact ⟨rlx_to a (fun j hj h => by omega) (fun j hj h => by omega), b, c, d⟩
theorem rel_crash {M : Int} {P u : Nat} {σ : CS} {τ : MS} (R : Rel M 600 σ τ) (G : gP P σ τ) (hP : P ≤ 20) (hu : u < 8) (hth : τ 2 u ≠ 0) (hM : M + 8 < 1073741824) : Rel (M + 8) 600 (cTellN u (itr (fCrC P u) 8 0 (sI 1 u (nI 0) σ))) (mCrB P u τ) ∧ gP P (cTellN u (itr (fCrC P u) 8 0 (sI 1 u (nI 0) σ))) (mCrB P u τ) := by
  obtain ⟨R1, G1, h2, h8⟩ := rel_crash1 R G hP hu
  unfold cTellN mCrB
  constructor
  · refine (itr_rel (f := fTN u) (g := fCr3 (itr (fCr1 τ u) 8 0 (nI 0))) (fun j s t => Rel (M + j) 600 s t ∧ t 2 = upd (τ 2) u (nI 0) ∧ t 8 = τ 8) 0 _ _ ⟨R1.m (by omega), h2, h8⟩ 8 (fun j s t hj hR => ?_)).1.m (by omega)
    rw [Nat.zero_add]
    obtain ⟨hR, h2, h8⟩ := hR
    unfold fTN fCr3
    have hb : ((itr (fCr1 τ u) 8 0 (nI 0) >>> (nI j &&& 31)) &&& nI 1 = nI 1) ↔ mCarr τ u j = true := by
      rw [bt_iff hj, bt_msk (f := fun i => mCarr τ u i) (g := fCr1 τ u) (fun i x => rfl) 8 (by omega) j hj, bt_z hj]
      simp [hj]
    rw [show u * 8 + j = 8 * u + j by omega, (hR.1.2.2.1 (8 * u + j) (by omega)).2.2.1, hR.1.2.1 j hj]
    by_cases hc : mCarr τ u j = true
    · rw [if_pos (hb.mpr hc)]
      obtain ⟨a1, a2, a3, a4⟩ := mCarr_of hc
      have hne : j ≠ u := fun e => mCarr_ne R.1 hu hc e.symm
      have hj2 : t 2 j ≠ 0 := by rw [h2, pk_un hne]; exact a4
      rw [if_neg (by rw [h8]; exact a2), if_neg hj2]
      exact ⟨(rel_tell hR hj (by omega) hj2 (fun i hi => by omega)).m (by omega), by rw [mTell_2]; exact h2, by rw [mTell_k (by omega) (by omega) (by omega) (by omega) (by omega) (by omega) (by omega) (by omega)]; exact h8⟩
    · rw [if_neg (fun q => hc (hb.mp q))]
      have e : (if t 8 (8 * u + j) = 0 then s else if t 2 j = 0 then s else cTell j s) = s := by
        by_cases a2 : t 8 (8 * u + j) = 0
        · rw [if_pos a2]
        · rw [if_neg a2]
          by_cases a4 : t 2 j = 0
          · rw [if_pos a4]
          · exfalso
            rw [h8] at a2
            have a5 : τ 5 (8 * u + j) ≠ 0 := fun q => a2 ((R.1.2.2.1 (8 * u + j) (by omega)).2.2.2.2.1 q)
            have hne : j ≠ u := fun e => a5 (by rw [e]; exact R.1.2.2.2.2 u hu)
            rw [h2, pk_un hne] at a4
            exact hc (mCarr_to a5 a2 hth a4)
      rw [e]
      exact ⟨hR.m (by omega), h2, h8⟩
  · refine gP_keep G1 ?_ (mKp_itr (fun i t => ?_) 8 0 _)
    · exact cTellN_keep
    · unfold fCr3; split
      · exact mKp_tell
      · exact mKp.r
