/-! PURE FUNCTIONS OF THE CLASS: packets; what the other functions leave alone; what holds of the packets -/
def keep (σ ρ : CS) : Prop := (∀ k, 12 ≤ k → ρ.1 k = σ.1 k) ∧ ρ.1 0 1 = σ.1 0 1
theorem keep.r {σ : CS} : keep σ σ := ⟨fun _ _ => rfl, rfl⟩
theorem keep.t {σ ρ κ : CS} (h1 : keep σ ρ) (h2 : keep ρ κ) : keep σ κ := ⟨fun k hk => (h2.1 k hk).trans (h1.1 k hk), h2.2.trans h1.2⟩
theorem keep_sI {k j : Nat} {v : Int32} {σ : CS} (hk : k < 12) (h0 : k ≠ 0 ∨ j ≠ 1) : keep σ (sI k j v σ) := by
  refine ⟨fun i hi => sI_k (by omega), ?_⟩
  rcases Nat.eq_zero_or_pos k with h | h
  · subst h
    rw [sI_at, pk_un]
    rcases h0 with h0 | h0
    · exact absurd rfl h0
    · exact Ne.symm h0
  · rw [sI_k (by omega)]
theorem keep_sJ {k j : Nat} {v : Int64} {σ : CS} : keep σ (sJ k j v σ) := ⟨fun _ _ => rfl, rfl⟩
theorem itr_keep {f : Nat → CS → CS} (h : ∀ i s, keep s (f i s)) (n i : Nat) (s : CS) : keep s (itr f n i s) := itr_inv (P := fun q => keep s q) (fun i q hq => hq.t (h i q)) n i s keep.r
theorem pWrite_keep {nb bb cb cn row : Nat} {x y : Int32} {z : Int64} {σ : CS} (h1 : nb < 12) (h2 : nb ≠ 0) (h3 : bb < 12) (h4 : bb ≠ 0) (h5 : cn ≠ 1) : keep σ (pWrite nb bb cb cn row x y z σ) := by
  unfold pWrite
  split
  · exact (keep_sI (by decide) (Or.inr h5)).t ((keep_sI h1 (Or.inl h2)).t ((keep_sI h3 (Or.inl h4)).t keep_sJ))
  · exact (keep_sI h1 (Or.inl h2)).t ((keep_sI h3 (Or.inl h4)).t keep_sJ)
theorem pClear_keep {nb cb cn row : Nat} {σ : CS} (h1 : nb < 12) (h2 : nb ≠ 0) (h5 : cn ≠ 1) : keep σ (pClear nb cb cn row σ) := by
  unfold pClear
  split
  · exact (keep_sI h1 (Or.inl h2)).t keep_sJ
  · exact (keep_sI (by decide) (Or.inr h5)).t ((keep_sI h1 (Or.inl h2)).t keep_sJ)
theorem cSendKnown_keep {f t o : Nat} {σ : CS} : keep σ (cSendKnown f t o σ) := by
  unfold cSendKnown
  split
  · exact keep.r
  · exact (pWrite_keep (by decide) (by decide) (by decide) (by decide) (by decide)).t (keep_sI (by decide) (Or.inl (by decide)))
theorem cSendAll_keep {f t : Nat} {σ : CS} : keep σ (cSendAll f t σ) := itr_keep (fun _ _ => cSendKnown_keep) 8 0 σ
theorem cSpread_keep {u o : Nat} {x : Int32} {σ : CS} : keep σ (cSpread u o x σ) := itr_keep (fun i s => by
  unfold fSpread
  split
  · exact keep.r
  · split
    · exact cSendKnown_keep
    · exact keep.r) 8 0 σ
theorem cTell_keep {u : Nat} {σ : CS} : keep σ (cTell u σ) := by
  unfold cTell tell2 tell1
  exact ((keep_sI (by decide) (Or.inl (by decide))).t (pWrite_keep (by decide) (by decide) (by decide) (by decide) (by decide))).t cSpread_keep
theorem cTellN_keep {u : Nat} {σ : CS} : keep σ (cTellN u σ) := itr_keep (fun i s => by
  unfold fTN
  split
  · exact keep.r
  · split
    · exact keep.r
    · exact cTell_keep) 8 0 σ
theorem cTellA_keep {σ : CS} : keep σ (cTellA σ) := itr_keep (fun i s => by
  unfold fTA
  split
  · exact keep.r
  · split
    · exact cTell_keep
    · exact keep.r) 8 0 σ
theorem cRecv_keep {row : Nat} {σ : CS} : keep σ (cRecv row σ) := by
  unfold cRecv
  refine keep.t ?_ (pClear_keep (by decide) (by decide) (by decide))
  unfold cRecvB
  split
  · split
    · exact keep.r
    · exact (keep_sI (by decide) (Or.inl (by decide))).t cTell_keep
  · split
    · split
      · exact keep.r
      · exact cSendKnown_keep
    · exact (pWrite_keep (by decide) (by decide) (by decide) (by decide) (by decide)).t cSpread_keep
theorem cArr_keep {σ : CS} : keep σ (cArr σ) := by
  unfold cArr
  split
  · exact keep.r
  · refine itr_keep (fun i s => ?_) 512 0 σ
    unfold fArr
    split
    · exact keep.r
    · split
      · exact cRecv_keep
      · exact keep.r
theorem cClr_keep {nb bb cb cn : Nat} {y : Int32} (h1 : nb < 12) (h2 : nb ≠ 0) (h5 : cn ≠ 1) : ∀ (n i : Nat) (x : Int32) (σ : CS), keep σ (cClr nb bb cb cn y n i x σ) := by
  intro n
  induction n with
  | zero => intro i x σ; exact keep.r
  | succ n ih =>
    intro i x σ
    unfold cClr
    split
    · exact keep.r
    · split
      · exact ih _ _ _
      · split
        · exact ih _ _ _
        · exact (pClear_keep h1 h2 h5).t (ih _ _ _)
theorem cClrB_keep {nb bb cb cn N : Nat} {y : Int32} {σ : CS} (h1 : nb < 12) (h2 : nb ≠ 0) (h5 : cn ≠ 1) : keep σ (cClrB nb bb cb cn N y σ) := cClr_keep h1 h2 h5 _ _ _ _
theorem cMeas_keep {v g : Nat} {σ : CS} : keep σ (cMeas v g σ) := by
  unfold cMeas
  refine keep.t (itr_keep (fun i s => ?_) 8 0 σ) (itr_keep (fun i s => itr_keep (fun j s => itr_keep (fun k s => ?_) 8 0 s) 8 0 s) 7 1 _)
  · unfold fM0; split <;> exact keep_sI (by decide) (Or.inl (by decide))
  · unfold fM3
    split
    · exact keep.r
    · split
      · exact keep.r
      · exact keep_sI (by decide) (Or.inl (by decide))
theorem cW_eq {X : va_W} {cy : Nat → ClassId} {a : Nat → Nat} {P : Nat} {σ ρ : CS} (h : keep σ ρ) : (X ++ cK cy a P σ) ++ cB cy a ρ = cW X cy a P ρ := by rw [cK_eq h.1]
/-- the packets: targets, traces, where those under way go -/
def cI (P : Nat) (σ : CS) : Prop := P ≤ 20 ∧ σ.1 0 1 = nI P ∧ ∀ p : Nat, p < P → ∃ g n : Nat, g < 8 ∧ n ≤ 31 ∧ σ.1 12 p = nI g ∧ σ.1 13 p = nI n ∧ (σ.1 15 p = 0 → ∃ v : Nat, v < 8 ∧ σ.1 17 p = nI v)
theorem cI_keep {P : Nat} {σ ρ : CS} (h : cI P σ) (hk : keep σ ρ) : cI P ρ := by
  obtain ⟨h1, h2, h3⟩ := h
  refine ⟨h1, hk.2.trans h2, fun p hp => ?_⟩
  rw [hk.1 12 (by decide), hk.1 13 (by decide), hk.1 15 (by decide), hk.1 17 (by decide)]
  exact h3 p hp
def thB (σ : CS) (u v r : Nat) : Bool := if σ.1 16 r = nI u then (if σ.1 17 r = nI v then true else false) else false
def isOnB (σ : CS) (u v r : Nat) : Bool := if σ.1 15 r = 0 then (if thB σ u v r = true then true else thB σ v u r) else false
def fEm1 (u v i : Nat) (σ : CS) : CS := pClear 8 1 4 ((v * 8 + u) * 8 + i) (pClear 8 1 4 ((u * 8 + v) * 8 + i) σ)
def fEm2 (P u v i : Nat) (σ : CS) : CS := if i < P then (if isOnB σ u v i = true then sI 15 i (nI 3) σ else σ) else σ
def cEmpty (P u v : Nat) (σ : CS) : CS := itr (fEm2 P u v) 20 0 (itr (fEm1 u v) 8 0 σ)
def down1 (u v : Nat) (σ : CS) : CS := sI 5 (v * 8 + u) (nI 0) (sI 5 (u * 8 + v) (nI 0) σ)
def cDown (P u v : Nat) (σ : CS) : CS := if carr σ u v = true then cTell (max u v) (cTell (min u v) (cEmpty P u v (down1 u v σ))) else down1 u v σ
def vis1 (r v : Nat) (σ : CS) : CS := sI 16 r (nI v) σ
def cVis (r v : Nat) (σ : CS) : CS := if 31 ≤ (σ.1 13 r).toNatClampNeg then vis1 r v σ else sI 13 r (nI ((σ.1 13 r).toNatClampNeg + 1)) (sI (19 + r) (σ.1 13 r).toNatClampNeg (nI v) (vis1 r v σ))
def hop3 (r : Nat) (h : Int32) (σ : CS) : CS := sI 17 r h (sI 14 r (σ.1 14 r - nI 1) σ)
def cHopB (r v : Nat) (h : Int32) (σ : CS) : CS := if h = -1 then sI 15 r (nI 3) σ else if carr σ v h.toNatClampNeg = true then sI 18 r ((hop3 r h σ).1 0 2 + (hop3 r h σ).1 4 (v * 8 + h.toNatClampNeg)) (hop3 r h σ) else sI 15 r (nI 3) σ
def cHandle (r v : Nat) (σ : CS) : CS := if v = (σ.1 12 r).toNatClampNeg then sI 15 r (nI 1) (cVis r v σ) else if (cVis r v σ).1 14 r = 0 then sI 15 r (nI 2) (cVis r v σ) else cHopB r v (cHop v (σ.1 12 r).toNatClampNeg (cVis r v σ)) (cMeas v (σ.1 12 r).toNatClampNeg (cVis r v σ))
def fMv (P i : Nat) (σ : CS) : CS := if i < P then (if σ.1 15 i = 0 then (if σ.1 18 i = σ.1 0 2 then cHandle i (σ.1 17 i).toNatClampNeg σ else σ) else σ) else σ
def cMove (P : Nat) (σ : CS) : CS := itr (fMv P) 20 0 σ
theorem srch_inv {f : Nat → Option Int32} {Q : Int32 → Prop} : ∀ (n i : Nat), (∀ j r, i ≤ j → j < i + n → f j = some r → Q r) → ∀ r, srch f n i = some r → Q r := by
  intro n
  induction n with
  | zero => intro i _ r hr; cases hr
  | succ n ih =>
    intro i h r hr
    have hr : (match f i with | some r => some r | none => srch f n (i + 1)) = some r := hr
    cases hf : f i with
    | some y => rw [hf] at hr; cases hr; exact h i r (by omega) (by omega) hf
    | none => rw [hf] at hr; exact ih (i + 1) (fun j r h1 h2 => h j r (by omega) (by omega)) r hr
theorem cHop_of {v g : Nat} {σ : CS} (h : ¬ cHop v g σ = -1) : ∃ j : Nat, j < 8 ∧ cHop v g σ = nI j := by
  unfold cHop at h ⊢
  split at h
  · exact absurd rfl h
  · rename_i h1
    rw [if_neg h1]
    split at h
    · rename_i h2
      rw [if_pos h2]
      cases hs : srch (fHop (cMeas v g σ) v) 8 0 with
      | none => rw [hs] at h; exact absurd rfl h
      | some r =>
        refine srch_inv (Q := fun r => ∃ j : Nat, j < 8 ∧ r = nI j) 8 0 (fun j r _ hj hf => ?_) r hs
        unfold fHop at hf
        split at hf
        · cases hf
        · split at hf
          · cases hf; exact ⟨j, by omega, rfl⟩
          · cases hf
    · exact absurd rfl h
theorem cVis_k {k r v : Nat} {σ : CS} (h1 : k ≠ 16) (h2 : k ≠ 13) (h3 : k ≠ 19 + r) : (cVis r v σ).1 k = σ.1 k := by
  unfold cVis vis1
  split
  · exact sI_k h1
  · rw [sI_k h2, sI_k h3, sI_k h1]
/-- one packet's row changes -/
theorem cI_upd {P p : Nat} {σ ρ : CS} (h : cI P σ) (h0 : ρ.1 0 1 = σ.1 0 1)
    (ho : ∀ q : Nat, q ≠ p → ρ.1 12 q = σ.1 12 q ∧ ρ.1 13 q = σ.1 13 q ∧ ρ.1 15 q = σ.1 15 q ∧ ρ.1 17 q = σ.1 17 q)
    (hr : ∃ g n : Nat, g < 8 ∧ n ≤ 31 ∧ ρ.1 12 p = nI g ∧ ρ.1 13 p = nI n ∧ (ρ.1 15 p = 0 → ∃ v : Nat, v < 8 ∧ ρ.1 17 p = nI v)) : cI P ρ := by
  obtain ⟨h1, h2, h3⟩ := h
  refine ⟨h1, h0.trans h2, fun q hq => ?_⟩
  by_cases e : q = p
  · subst e; exact hr
  · obtain ⟨o1, o2, o3, o4⟩ := ho q e
    rw [o1, o2, o3, o4]
    exact h3 q hq
theorem cI_15 {P r : Nat} {v : Int32} {σ : CS} (h : cI P σ) (hr : r < P) (hv : ¬ v = 0) : cI P (sI 15 r v σ) := by
  obtain ⟨g, n, hg, hn, e1, e2, e3⟩ := h.2.2 r hr
  refine cI_upd (p := r) h (by rw [sI_k (by decide)]) (fun q hq => ⟨by rw [sI_k (by decide)], by rw [sI_k (by decide)], by rw [sI_at, pk_un hq], by rw [sI_k (by decide)]⟩) ⟨g, n, hg, hn, by rw [sI_k (by decide)]; exact e1, by rw [sI_k (by decide)]; exact e2, fun hz => ?_⟩
  rw [sI_at, pk_us] at hz
  exact absurd hz hv
theorem fEm1_I {P u v : Nat} (i : Nat) {σ : CS} (h : cI P σ) : cI P (fEm1 u v i σ) := cI_keep h ((pClear_keep (by decide) (by decide) (by decide)).t (pClear_keep (by decide) (by decide) (by decide)))
theorem fEm2_I {P u v : Nat} (i : Nat) {σ : CS} (h : cI P σ) : cI P (fEm2 P u v i σ) := by
  unfold fEm2
  split
  · rename_i hi
    split
    · exact cI_15 h hi (by decide)
    · exact h
  · exact h
theorem cEmpty_I {P u v : Nat} {σ : CS} (h : cI P σ) : cI P (cEmpty P u v σ) := itr_inv (P := cI P) (fun i s hs => fEm2_I i hs) 20 0 _ (itr_inv (P := cI P) (fun i s hs => fEm1_I i hs) 8 0 _ h)
theorem cVis_I {P r v : Nat} {σ : CS} (h : cI P σ) (hr : r < P) : cI P (cVis r v σ) := by
  obtain ⟨g, n, hg, hn, e1, e2, e3⟩ := h.2.2 r hr
  refine cI_upd (p := r) h (by rw [cVis_k (by decide) (by decide) (by omega)]) (fun q hq => ⟨by rw [cVis_k (by decide) (by decide) (by omega)], ?_, by rw [cVis_k (by decide) (by decide) (by omega)], by rw [cVis_k (by decide) (by decide) (by omega)]⟩) ?_
  · unfold cVis vis1
    split
    · rw [sI_k (by decide)]
    · rw [sI_at, pk_un hq, sI_k (by omega), sI_k (by decide)]
  · have hc : (σ.1 13 r).toNatClampNeg = n := by rw [e2]; exact nI_clamp (by omega)
    rw [cVis_k (k := 12) (by decide) (by decide) (by omega), cVis_k (k := 15) (by decide) (by decide) (by omega), cVis_k (k := 17) (by decide) (by decide) (by omega)]
    unfold cVis vis1
    split
    · exact ⟨g, n, hg, hn, e1, by rw [sI_k (by decide)]; exact e2, e3⟩
    · rename_i hlt
      rw [hc] at hlt
      exact ⟨g, n + 1, hg, by omega, e1, by rw [sI_at, pk_us, hc], e3⟩
theorem cHandle_I {P r v : Nat} {σ : CS} (h : cI P σ) (hr : r < P) : cI P (cHandle r v σ) := by
  have hv := cVis_I (v := v) h hr
  unfold cHandle
  split
  · exact cI_15 hv hr (by decide)
  · split
    · exact cI_15 hv hr (by decide)
    · have hm : cI P (cMeas v (σ.1 12 r).toNatClampNeg (cVis r v σ)) := cI_keep hv cMeas_keep
      unfold cHopB
      split
      · exact cI_15 hm hr (by decide)
      · rename_i hh
        obtain ⟨j, hj, ej⟩ := cHop_of hh
        split
        · obtain ⟨g, n, hg, hn, e1, e2, e3⟩ := hm.2.2 r hr
          unfold hop3
          refine cI_upd (p := r) hm (by rw [sI_k (by decide), sI_k (by decide), sI_k (by decide)]) (fun q hq => ⟨by rw [sI_k (by decide), sI_k (by decide), sI_k (by decide)], by rw [sI_k (by decide), sI_k (by decide), sI_k (by decide)], by rw [sI_k (by decide), sI_k (by decide), sI_k (by decide)], by rw [sI_k (by decide), sI_at, pk_un hq, sI_k (by decide)]⟩) ⟨g, n, hg, hn, by rw [sI_k (by decide), sI_k (by decide), sI_k (by decide)]; exact e1, by rw [sI_k (by decide), sI_k (by decide), sI_k (by decide)]; exact e2, fun _ => ⟨j, hj, by rw [sI_k (by decide), sI_at, pk_us]; exact ej⟩⟩
        · exact cI_15 hm hr (by decide)
theorem fMv_I {P : Nat} (i : Nat) {σ : CS} (h : cI P σ) : cI P (fMv P i σ) := by
  unfold fMv
  split
  · rename_i hi
    split
    · split
      · exact cHandle_I h hi
      · exact h
    · exact h
  · exact h
theorem cMove_I {P : Nat} {σ : CS} (h : cI P σ) : cI P (cMove P σ) := itr_inv (P := cI P) (fun i s hs => fMv_I i hs) 20 0 _ h
