/-! SHORTEST WAYS: class and reference both relax -/
def Bd (f : Nat → Nat) : Prop := ∀ i, i < 8 → f i = 1000 ∨ f i + 50 ≤ 50 * cntP (fun k => f k ≠ 1000) 8
theorem Bd.b {f : Nat → Nat} (h : Bd f) {i : Nat} (hi : i < 8) : f i = 1000 ∨ f i ≤ 350 := by
  have := cntP_le (p := fun k => f k ≠ 1000) 8
  rcases h i hi with a | a
  · exact Or.inl a
  · right; omega
theorem bd_rx {w : Nat → Nat → Nat} {i j : Nat} {f : Nat → Nat} (h : Bd f) (hi : i < 8) (hj : j < 8) (hw : w i j ≤ 50) : Bd (rx w i j f) := by
  unfold rx
  by_cases h1 : w i j = 0
  · rw [if_pos h1]; exact h
  · rw [if_neg h1]
    by_cases h2 : f i ≤ w i j + f j
    · rw [if_pos h2]; exact h
    · rw [if_neg h2]
      have hb := h.b hi
      have hfj : f j + 50 ≤ 50 * cntP (fun k => f k ≠ 1000) 8 := (h j hj).resolve_left (by omega)
      have e1 : cntP (fun k => f k ≠ 1000) 8 ≤ cntP (fun k => uN f i (w i j + f j) k ≠ 1000) 8 := cntP_mono 8 (fun k _ q => by
        by_cases e : k = i
        · rw [e, uN_s]; omega
        · rw [uN_n e]; exact q)
      intro k hk
      by_cases e : k = i
      · right
        rw [e, uN_s]
        rcases hb with q | q
        · have := cntP_lt (p := fun k => f k ≠ 1000) (q := fun k => uN f i (w i j + f j) k ≠ 1000) (j := i) 8 (fun k _ q => by
            by_cases e : k = i
            · rw [e, uN_s]; omega
            · rw [uN_n e]; exact q) hi (by omega) (by rw [uN_s]; omega)
          omega
        · have := (h i hi).resolve_left (by omega)
          omega
      · rw [uN_n e]
        rcases h k hk with q | q
        · exact Or.inl q
        · right; omega
theorem bd_0 {g : Nat} (hg : g < 8) : Bd (ff g) := by
  intro i hi
  have := cntP_lt (p := fun _ => False) (q := fun k => ff g k ≠ 1000) (j := g) 8 (fun _ _ h => absurd h id) hg id (by unfold ff; rw [if_pos rfl]; omega)
  unfold ff
  by_cases e : i = g
  · rw [if_pos e]; right; unfold ff at this; omega
  · rw [if_neg e]; exact Or.inl rfl
theorem nI_l0 {n : Nat} (h : n < 2 ^ 31) : nI n ≤ 0 ↔ n = 0 := by
  rw [tle, tn h, t0]; omega
theorem nI_m1 {n : Nat} (h : n < 2 ^ 31) : nI n ≠ -1 := fun q => by
  have := congrArg Int32.toInt q
  rw [tn h, tnm] at this
  omega
/-- the class -/
theorem cStep_c {σ ρ : CS} {v i j : Nat} (h : ρ.2 = σ.2) : cStep ρ v i j = cStep σ v i j := by unfold cStep; rw [h]
def CA (σ0 : CS) (f : Nat → Nat) (σ : CS) : Prop := (∀ i, i < 8 → σ.1 11 i = nI (f i)) ∧ (∀ k, k ≠ 11 → σ.1 k = σ0.1 k) ∧ σ.2 = σ0.2 ∧ Bd f
section CC
variable {w : Nat → Nat → Nat} {v g : Nat} {σ0 : CS}
theorem ca_rx {i j : Nat} {f : Nat → Nat} {σ : CS} (hw : ∀ i j, i < 8 → j < 8 → cStep σ0 v i j = nI (w i j) ∧ w i j ≤ 50) (hi : i < 8) (hj : j < 8) (A : CA σ0 f σ) : CA σ0 (rx w i j f) (fM3 v i j σ) := by
  obtain ⟨a1, a2, a3, a4⟩ := A
  obtain ⟨w1, w2⟩ := hw i j hi hj
  have b := bd_rx a4 hi hj w2
  have bi := a4.b hi
  have bj := a4.b hj
  unfold fM3
  rw [cStep_c a3, w1, a1 i hi, a1 j hj, nI_add]
  unfold rx at *
  by_cases h1 : w i j = 0
  · rw [if_pos h1] at b ⊢
    rw [if_pos ((nI_l0 (by omega)).mpr h1)]
    exact ⟨a1, a2, a3, a4⟩
  · rw [if_neg h1] at b ⊢
    rw [if_neg (fun q => h1 ((nI_l0 (by omega)).mp q))]
    by_cases h2 : f i ≤ w i j + f j
    · rw [if_pos h2] at b ⊢
      rw [if_pos ((nI_leI (by omega) (by omega)).mpr h2)]
      exact ⟨a1, a2, a3, a4⟩
    · rw [if_neg h2] at b ⊢
      rw [if_neg (fun q => h2 ((nI_leI (by omega) (by omega)).mp q))]
      refine ⟨fun k hk => ?_, fun k hk => by rw [sI_k hk]; exact a2 k hk, a3, b⟩
      rw [sI_at]
      by_cases e : k = i
      · rw [e, pk_us, uN_s]
      · rw [pk_un e, uN_n e]; exact a1 k hk
theorem itr_rds : ∀ (n i : Nat) (f : Nat → Nat), itr (fun _ => rd w) n i f = rds w n f := by
  intro n
  induction n with
  | zero => intro i f; rfl
  | succ n ih => intro i f; exact ih (i + 1) (rd w f)
theorem ca_init {σ : CS} (hg : g < 8) : CA σ (ff g) (itr (fM0 g) 8 0 σ) := by
  have := itr_ind (f := fM0 g) (fun n s => (∀ i, i < n → s.1 11 i = nI (ff g i)) ∧ (∀ k, k ≠ 11 → s.1 k = σ.1 k) ∧ s.2 = σ.2) 0 σ ⟨fun i hi => by omega, fun _ _ => rfl, rfl⟩ 8 (fun n s hn h => by
    rw [Nat.zero_add]
    obtain ⟨h1, h2, h3⟩ := h
    have e : fM0 g n s = sI 11 n (nI (ff g n)) s := by
      unfold fM0 ff
      by_cases q : n = g
      · rw [if_pos q, if_pos q]
      · rw [if_neg q, if_neg q]
    rw [e]
    refine ⟨fun i hi => ?_, fun k hk => by rw [sI_k hk]; exact h2 k hk, h3⟩
    rw [sI_at]
    by_cases q : i = n
    · rw [q, pk_us]
    · rw [pk_un q]; exact h1 i (by omega))
  exact ⟨this.1, this.2.1, this.2.2, bd_0 hg⟩
theorem ca_meas {σ : CS} (hw : ∀ i j, i < 8 → j < 8 → cStep σ v i j = nI (w i j) ∧ w i j ≤ 50) (hg : g < 8) : CA σ (rds w 7 (ff g)) (cMeas v g σ) := by
  unfold cMeas
  rw [← itr_rds 7 1]
  refine itr_rel (f := fM1 v) (g := fun _ => rd w) (fun _ s f => CA σ f s) 1 _ _ (ca_init hg) 7 (fun j s f _ A => ?_)
  refine itr_rel (f := fM2 v) (g := rd2 w) (fun _ s f => CA σ f s) 0 _ _ A 8 (fun i s f hi A => ?_)
  refine itr_rel (f := fM3 v (0 + i)) (g := rx w (0 + i)) (fun _ s f => CA σ f s) 0 _ _ A 8 (fun j s f hj A => ?_)
  exact ca_rx hw (by omega) (by omega) A
end CC
/-- the reference -/
def MA (τ0 : MS) (f : Nat → Nat) (τ : MS) : Prop := (∀ i, i < 8 → τ 25 i = if f i = 1000 then -1 else nI (f i)) ∧ (∀ k, k ≠ 25 → τ k = τ0 k) ∧ Bd f
theorem mStep_c {τ ρ : MS} {v i j : Nat} (h9 : ρ 9 = τ 9) (h11 : ρ 11 = τ 11) : mStep ρ v i j = mStep τ v i j := by unfold mStep; rw [h9, h11]
section MM
variable {w : Nat → Nat → Nat} {v g : Nat} {τ0 : MS}
def mQd (τ0 : MS) (f0 : Nat → Nat) (s : MS × Int32) (f : Nat → Nat) : Prop := MA τ0 f s.1 ∧ ((s.2 = 0 ∧ f = f0) ∨ (s.2 ≠ 0 ∧ sumN f 8 < sumN f0 8))
theorem ma_rx {i j : Nat} {f f0 : Nat → Nat} {s : MS × Int32} (hw : ∀ i j, i < 8 → j < 8 → mStep τ0 v i j = nI (w i j) ∧ w i j ≤ 50) (hi : i < 8) (hj : j < 8) (A : mQd τ0 f0 s f) : mQd τ0 f0 (fD3 v i j s) (rx w i j f) := by
  obtain ⟨⟨a1, a2, a4⟩, a5⟩ := A
  obtain ⟨w1, w2⟩ := hw i j hi hj
  have b := bd_rx a4 hi hj w2
  have bi := a4.b hi
  have bj := a4.b hj
  have set : ∀ x : Int32, x = nI (w i j + f j) → w i j ≠ 0 → w i j + f j < f i → mQd τ0 f0 (mS 25 i x s.1, nI 1) (uN f i (w i j + f j)) := fun x hx h1 h2 => by
    have hr : rx w i j f = uN f i (w i j + f j) := by unfold rx; rw [if_neg h1, if_neg (by omega)]
    rw [hr] at b
    refine ⟨⟨fun k hk => ?_, fun k hk => ?_, b⟩, Or.inr ⟨by show nI 1 ≠ 0; decide, ?_⟩⟩
    · show (mS 25 i x s.1) 25 k = _
      rw [mS_at]
      by_cases e : k = i
      · rw [e, pk_us, uN_s, if_neg (by omega), hx]
      · rw [pk_un e, uN_n e]; exact a1 k hk
    · show (mS 25 i x s.1) k = _
      rw [mS_ne hk]; exact a2 k hk
    · have hlt : sumN (uN f i (w i j + f j)) 8 < sumN f 8 := sumN_lt 8 (fun k _ => by
        by_cases e : k = i
        · rw [e, uN_s]; omega
        · rw [uN_n e]; exact Nat.le_refl _) hi (by rw [uN_s]; exact h2)
      rcases a5 with ⟨-, q⟩ | ⟨-, q⟩
      · rw [q] at hlt; rw [q]; exact hlt
      · omega
  unfold fD3
  rw [mStep_c (τ := τ0) (a2 9 (by decide)) (a2 11 (by decide)), w1, a1 i hi, a1 j hj]
  by_cases h1 : w i j = 0
  · rw [if_pos ((nI_l0 (by omega)).mpr h1)]
    unfold rx
    rw [if_pos h1]
    exact ⟨⟨a1, a2, a4⟩, a5⟩
  · rw [if_neg (fun q => h1 ((nI_l0 (by omega)).mp q))]
    by_cases hj0 : f j = 1000
    · rw [if_pos hj0, if_pos rfl]
      unfold rx
      rw [if_neg h1, if_pos (by omega)]
      exact ⟨⟨a1, a2, a4⟩, a5⟩
    · rw [if_neg hj0, if_neg (nI_m1 (by omega)), nI_add]
      by_cases hi0 : f i = 1000
      · rw [if_pos hi0, if_pos rfl]
        unfold rx
        rw [if_neg h1, if_neg (by omega)]
        exact set _ (by rw [Nat.add_comm]) h1 (by omega)
      · rw [if_neg hi0, if_neg (nI_m1 (by omega))]
        by_cases h2 : f i ≤ w i j + f j
        · rw [if_pos ((nI_leI (by omega) (by omega)).mpr (by omega))]
          unfold rx
          rw [if_neg h1, if_pos h2]
          exact ⟨⟨a1, a2, a4⟩, a5⟩
        · rw [if_neg (fun q => h2 (by have := (nI_leI (by omega) (by omega)).mp q; omega))]
          unfold rx
          rw [if_neg h1, if_neg h2]
          exact set _ (by rw [Nat.add_comm]) h1 (by omega)
theorem ma_rnd {f : Nat → Nat} {τ : MS} (hw : ∀ i j, i < 8 → j < 8 → mStep τ0 v i j = nI (w i j) ∧ w i j ≤ 50) (A : MA τ0 f τ) : mQd τ0 f (mRnd v τ) (rd w f) := by
  unfold mRnd
  refine itr_rel (f := fD2 v) (g := rd2 w) (fun _ s q => mQd τ0 f s q) 0 _ _ ⟨A, Or.inl ⟨nI0, rfl⟩⟩ 8 (fun i s q hi A => ?_)
  refine itr_rel (f := fD3 v (0 + i)) (g := rx w (0 + i)) (fun _ s q => mQd τ0 f s q) 0 _ _ A 8 (fun j s q hj A => ?_)
  exact ma_rx hw (by omega) (by omega) A
theorem ma_while (hw : ∀ i j, i < 8 → j < 8 → mStep τ0 v i j = nI (w i j) ∧ w i j ≤ 50) : ∀ (n m : Nat) (f : Nat → Nat) (τ : MS), m < n → MA τ0 f τ → rd w (rds w m f) = rds w m f → mStops v n τ ∧ MA τ0 (rds w m f) (mWhile v n τ) := by
  intro n
  induction n with
  | zero => intro m f τ h; omega
  | succ n ih =>
    intro m f τ hm A hst
    obtain ⟨B, C⟩ := ma_rnd hw A
    rcases C with ⟨c1, c2⟩ | ⟨c1, c2⟩
    · refine ⟨Or.inl c1, ?_⟩
      show MA τ0 _ (if (mRnd v τ).2 = 0 then (mRnd v τ).1 else mWhile v n (mRnd v τ).1)
      rw [if_pos c1, rds_st c2]
      rw [c2] at B
      exact B
    · have hne : rd w f ≠ f := fun q => by rw [q] at c2; omega
      cases m with
      | zero => exact absurd hst hne
      | succ m =>
        obtain ⟨i1, i2⟩ := ih m (rd w f) (mRnd v τ).1 (by omega) B hst
        refine ⟨Or.inr i1, ?_⟩
        show MA τ0 _ (if (mRnd v τ).2 = 0 then (mRnd v τ).1 else mWhile v n (mRnd v τ).1)
        rw [if_neg c1]
        exact i2
theorem ma_init {τ : MS} (hg : g < 8) : MA τ (ff g) (mD0 g τ) := by
  have := itr_ind (f := fD0 g) (fun n s => (∀ i, i < n → s 25 i = if ff g i = 1000 then -1 else nI (ff g i)) ∧ (∀ k, k ≠ 25 → s k = τ k)) 0 τ ⟨fun i hi => by omega, fun _ _ => rfl⟩ 8 (fun n s hn h => by
    rw [Nat.zero_add]
    obtain ⟨h1, h2⟩ := h
    have e : fD0 g n s = mS 25 n (if ff g n = 1000 then -1 else nI (ff g n)) s := by
      unfold fD0 ff
      by_cases q : n = g
      · rw [if_pos q, if_pos q, if_neg (by omega)]
      · rw [if_neg q, if_neg q, if_pos rfl]
    rw [e]
    refine ⟨fun i hi => ?_, fun k hk => by rw [mS_ne hk]; exact h2 k hk⟩
    rw [mS_at]
    by_cases q : i = n
    · rw [q, pk_us]
    · rw [pk_un q]; exact h1 i (by omega))
  exact ⟨this.1, this.2, bd_0 hg⟩
theorem ma_meas {τ : MS} (hw : ∀ i j, i < 8 → j < 8 → mStep τ v i j = nI (w i j) ∧ w i j ≤ 50) (hg : g < 8) : mStops v mFuel (mD0 g τ) ∧ MA τ (rds w 7 (ff g)) (mMeas v g τ) :=
  ma_while hw mFuel 7 (ff g) (mD0 g τ) (by unfold mFuel; omega) (ma_init hg) (rds_7 hg)
end MM
theorem r50_nI {x : Int32} (h : r50 x) : x = nI x.toInt.toNat ∧ x.toInt.toNat ≤ 50 := by
  obtain ⟨h1, h2⟩ := h
  refine ⟨teq.mpr ?_, by omega⟩
  rw [tn (by omega)]; omega
theorem mStep_r {τ : MS} (h : ∀ j, r50 (τ 11 j)) (v i j : Nat) : r50 (mStep τ v i j) := by
  unfold mStep
  split
  · exact r50_0
  · split
    · exact r50_0
    · split
      · exact r50_0
      · exact h _
theorem the_T : lrT := fun τ h v g hv hg => (ma_meas (w := fun i j => (mStep τ v i j).toInt.toNat) (fun i j _ _ => r50_nI (mStep_r h v i j)) hg).1
theorem step_eq {M : Int} {v i j : Nat} {σ : CS} {τ : MS} (K : gK M (fun _ => False) σ τ) (hv : v < 8) (hi : i < 8) (hj : j < 8) : cStep σ v i j = mStep τ v i j := by
  obtain ⟨i1, i2, i3, i4, i5⟩ := K (8 * v + i) (by omega) (fun h => h)
  obtain ⟨j1, j2, j3, j4, j5⟩ := K (8 * v + j) (by omega) (fun h => h)
  unfold cStep mStep
  rw [show v * 8 + i = 8 * v + i by omega, show v * 8 + j = 8 * v + j by omega]
  by_cases hj0 : τ 9 (8 * v + j) = 0
  · rw [j5 hj0, costF_0 hi, if_pos (tle.mpr (Int.le_refl _))]
    split
    · rfl
    · rw [if_pos (by rw [hj0]; exact tle.mpr (Int.le_refl _))]
  · have hjn : ¬ τ 9 (8 * v + j) ≤ 0 := fun q => hj0 (te0.mpr (by have := tle.mp q; rw [t0] at this; omega))
    obtain ⟨-, j6⟩ := j4 hj0
    by_cases hi0 : τ 9 (8 * v + i) = 0
    · rw [if_pos (show τ 9 (8 * v + i) ≤ 0 by rw [hi0]; exact tle.mpr (Int.le_refl _)), i5 hi0, costF_0 hj, nI0]
      split <;> rfl
    · have hin : ¬ τ 9 (8 * v + i) ≤ 0 := fun q => hi0 (te0.mpr (by have := tle.mp q; rw [t0] at this; omega))
      obtain ⟨-, i6⟩ := i4 hi0
      rw [if_neg hin, if_neg hjn, j6 i hi, i6 j hj]
/-- both measure alike -/
theorem meas_eq {M : Int} {v g : Nat} {σ : CS} {τ : MS} (K : gK M (fun _ => False) σ τ) (h11 : ∀ j, r50 (τ 11 j)) (hv : v < 8) (hg : g < 8) : ∃ (w : Nat → Nat → Nat) (f : Nat → Nat), CA σ f (cMeas v g σ) ∧ MA τ f (mMeas v g τ) ∧ ∀ i j, i < 8 → j < 8 → cStep σ v i j = nI (w i j) ∧ mStep τ v i j = nI (w i j) ∧ w i j ≤ 50 := by
  have hm : ∀ i j, i < 8 → j < 8 → mStep τ v i j = nI (mStep τ v i j).toInt.toNat ∧ (mStep τ v i j).toInt.toNat ≤ 50 := fun i j _ _ => r50_nI (mStep_r h11 v i j)
  have hc : ∀ i j, i < 8 → j < 8 → cStep σ v i j = nI (mStep τ v i j).toInt.toNat ∧ (mStep τ v i j).toInt.toNat ≤ 50 := fun i j hi hj => by rw [step_eq K hv hi hj]; exact hm i j hi hj
  exact ⟨fun i j => (mStep τ v i j).toInt.toNat, _, ca_meas hc hg, (ma_meas hm hg).2, fun i j hi hj => ⟨(hc i j hi hj).1, hm i j hi hj⟩⟩
theorem srch_snoc {f : Nat → Option Int32} : ∀ (n i : Nat), srch f (n + 1) i = (srch f n i).or (f (i + n)) := by
  intro n
  induction n with
  | zero =>
    intro i
    show (match f i with | some r => some r | none => none) = (none : Option Int32).or (f (i + 0))
    rw [Nat.add_zero]
    cases f i <;> rfl
  | succ n ih =>
    intro i
    show (match f i with | some r => some r | none => srch f (n + 1) (i + 1)) = (match f i with | some r => some r | none => srch f n (i + 1)).or (f (i + (n + 1)))
    rw [ih, show i + 1 + n = i + (n + 1) by omega]
    cases f i <;> rfl
theorem srch_dwn {f : Nat → Option Int32} {h : Nat → Int32 → Int32} : ∀ (n : Nat) (s : Int32), (∀ i x, i < n → h i x = (f i).getD x) → (srch f n 0).getD s = dwn h n s := by
  intro n
  induction n with
  | zero => intro s _; rfl
  | succ n ih =>
    intro s hh
    rw [srch_snoc, Nat.zero_add]
    show _ = dwn h n (h n s)
    rw [← ih _ (fun i x hi => hh i x (by omega)), hh n s (by omega)]
    cases srch f n 0 <;> rfl
theorem hop_eq {M : Int} {v g : Nat} {σ : CS} {τ : MS} (K : gK M (fun _ => False) σ τ) (h11 : ∀ j, r50 (τ 11 j)) (hv : v < 8) (hg : g < 8) (hvg : v ≠ g) : cHop v g σ = mHop v g τ := by
  obtain ⟨w, f, ⟨a1, a2, a3, a4⟩, ⟨b1, b2, -⟩, hw⟩ := meas_eq K h11 hv hg
  have bv := a4.b hv
  unfold cHop mHop
  rw [if_neg hvg, a1 v hv, b1 v hv]
  by_cases hf : f v = 1000
  · rw [if_pos hf, if_pos rfl, if_neg (by rw [hf]; exact nI_nlt (Nat.le_refl _) (by omega))]
  · rw [if_neg hf, if_neg (nI_m1 (by omega)), if_pos (nI_lt (by omega) (by omega))]
    refine srch_dwn 8 (-1) (fun i x hi => ?_)
    obtain ⟨w1, w2, w3⟩ := hw v i hv hi
    have bi := a4.b hi
    unfold fNx fHop
    rw [cStep_c a3, mStep_c (b2 9 (by decide)) (b2 11 (by decide)), w1, w2, a1 i hi, a1 v hv, b1 i hi, b1 v hv, if_neg hf, nI_add]
    by_cases h0 : nI (w v i) ≤ 0
    · rw [if_pos h0, if_pos h0]; rfl
    · rw [if_neg h0, if_neg h0]
      by_cases hi0 : f i = 1000
      · rw [if_pos hi0, if_pos rfl, if_neg (fun q => by have := nI_inj (by omega) (by omega) q; omega)]; rfl
      · rw [if_neg hi0, if_neg (nI_m1 (by omega)), nI_add, Nat.add_comm (f i)]
        split <;> rfl
